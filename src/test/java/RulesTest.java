import java.io.IOException;
import java.lang.management.ManagementFactory;
import java.lang.management.ThreadMXBean;
import java.lang.reflect.Constructor;
import java.lang.reflect.Field;
import java.lang.reflect.Method;
import java.lang.reflect.Modifier;
import java.nio.charset.StandardCharsets;
import java.nio.file.Files;
import java.nio.file.Path;
import java.util.Set;
import java.util.TreeSet;
import java.util.regex.Matcher;
import java.util.regex.Pattern;

/** The face of the class, the rules of LANGUAGE.md that can be read off the file, and the room. */
public final class RulesTest {
    private static final Path FILE = Path.of("src/main/java/SongChoir.java");

    private static final String[] FACE = {
        "append(int) throws IllegalArgumentException, IllegalStateException",
        "clearText()",
        "errorPosition()",
        "about(int) throws IllegalArgumentException",
        "note(int,int) throws IndexOutOfBoundsException, IllegalArgumentException",
        "suffix(int) throws IllegalArgumentException",
        "verse(int,int) throws IndexOutOfBoundsException, IllegalArgumentException",
        "singer(int,int) throws IndexOutOfBoundsException, IllegalArgumentException",
        "count() throws IllegalStateException",
        "placeOf(int) throws IllegalArgumentException, IllegalStateException",
        "known() throws IllegalStateException",
        "common(int,int) throws IndexOutOfBoundsException",
        "most(int,boolean) throws IllegalArgumentException",
        "sing() throws IllegalStateException",
        "again(int) throws IndexOutOfBoundsException",
        "forget() throws IllegalStateException",
        "setSingers(int) throws IllegalArgumentException",
        "undo() throws IllegalStateException",
        "wouldRepeat()",
        "bestSingers()",
        "bestAgain()",
        "runScript(int,long) throws IllegalArgumentException",
        "simulate(long,int) throws IllegalArgumentException",
        "save(int) throws IndexOutOfBoundsException",
        "restore(int) throws IndexOutOfBoundsException, IllegalStateException"};

    private static final String[] FORBIDDEN = {
        "->", "::", "\\bimport\\b", "\\bpackage\\b", "Exact\\(", "\\bsynchronized\\b", "\\bassert\\b",
        "\\bfinally\\b", "\\bcatch\\b", "\\btry\\b", "static \\{", "\\bhashCode\\b", "\\btoString\\b",
        "\\bequals\\b", "\\bvar\\b", "\\bvolatile\\b", "\\bObject\\b", "\\bSystem\\.(?!arraycopy)",
        "\\bRandom\\b", "\\bThread\\b", "[^\\x00-\\x7f]", "\" \\+", "\\+ \""};

    public static void main(String[] args) throws IOException {
        face();
        language(Files.readString(FILE, StandardCharsets.UTF_8));
        room();
        Check.end();
    }

    private static void face() {
        Set<String> face = new TreeSet<>();
        Set<String> names = new TreeSet<>();
        for (Method m : SongChoir.class.getDeclaredMethods()) {
            if (Modifier.isPrivate(m.getModifiers())) {
                continue;
            }
            Check.holds("public and no other: " + m, m.getModifiers() == Modifier.PUBLIC);
            Check.holds("answers int: " + m, m.getReturnType() == int.class);
            face.add(told(m));
            names.add(m.getName());
        }
        Check.same("the face", face.toString(), new TreeSet<>(Set.of(FACE)).toString());
        Check.due("public fields", SongChoir.class.getFields().length, 1);
        noneNamedLikeTheFace(SongChoir.class, names);
        for (Class<?> inside : SongChoir.class.getDeclaredClasses()) {
            noneNamedLikeTheFace(inside, names);
        }
        for (Field f : SongChoir.class.getDeclaredFields()) {
            int m = f.getModifiers();
            Check.holds("private, but for NONE: " + f, Modifier.isPrivate(m) || f.getName().equals("NONE"));
            Check.holds("final: " + f, Modifier.isFinal(m));
        }
        Constructor<?>[] makers = SongChoir.class.getDeclaredConstructors();
        Check.due("constructors", makers.length, 1);
        Check.due("without a parameter", makers[0].getParameterCount(), 0);
        Check.holds("the class is public and final",
            SongChoir.class.getModifiers() == (Modifier.PUBLIC | Modifier.FINAL));
    }

    private static String told(Method m) {
        String whole = m.toString().replace("java.lang.", "").replace(",Ill", ", Ill");
        return whole.substring(whole.indexOf('.') + 1);
    }

    private static void noneNamedLikeTheFace(Class<?> type, Set<String> names) {
        for (Method m : type.getDeclaredMethods()) {
            if (!Modifier.isPublic(m.getModifiers())) {
                Check.holds("a name of the face: " + m, !names.contains(m.getName()));
            }
        }
    }

    private static void language(String source) {
        String code = source.replaceAll("(?s)/\\*.*?\\*/", "").replaceAll("//[^\n]*", "");
        for (String forbidden : FORBIDDEN) {
            Matcher found = Pattern.compile(forbidden).matcher(code);
            Check.holds("LANGUAGE.md has no place for " + forbidden, !found.find());
        }
        Matcher thrown = Pattern.compile("throw\\b(?! new (IllegalArgument|IllegalState|IndexOutOfBounds)Exception\\(\"[^\"]*\"\\);)")
            .matcher(code);
        Check.holds("a throw of another form than rule 6 gives", !thrown.find());
        Check.holds("at most 12 classes", code.split("\\bclass ").length - 1 <= 12);
    }

    /** The dear calls, up to the 512th one of an object, must leave the room, which all runs share, as it is. */
    private static void room() {
        ThreadMXBean bean = ManagementFactory.getThreadMXBean();
        if (!(bean instanceof com.sun.management.ThreadMXBean)) {
            return;
        }
        com.sun.management.ThreadMXBean threads = (com.sun.management.ThreadMXBean) bean;
        long id = Thread.currentThread().getId();
        long start = threads.getThreadAllocatedBytes(id);
        SongChoir x = new SongChoir();
        long made = threads.getThreadAllocatedBytes(id) - start;
        Check.holds("a new object takes " + made + " bytes", made < 20000);
        for (int i = 0; i < 48; i++) {
            Check.sing(x, "abcdefgh".substring(i % 8, i % 8 + 1));
        }
        Check.text(x, "abababababab");
        dearCalls(x, 1);
        long before = threads.getThreadAllocatedBytes(id);
        dearCalls(x, 25);
        long taken = threads.getThreadAllocatedBytes(id) - before;
        Check.holds("the calls take " + taken + " bytes", taken < 20000);
    }

    private static void dearCalls(SongChoir x, int times) {
        for (int i = 0; i < times; i++) {
            x.bestAgain();
            x.bestSingers();
            x.wouldRepeat();
            x.simulate(i, 20);
            x.runScript(3, 10000_41234_80101L);
            x.most(2, false);
            x.sing();
            x.again(0);
            x.setSingers(1 + i % 8);
            x.forget();
            x.undo();
            x.save(i % 2);
            if (i % 16 == 15) {
                x.restore(1);
            }
        }
    }
}
