import java.io.IOException;
import java.lang.management.ManagementFactory;
import java.lang.reflect.Constructor;
import java.lang.reflect.Field;
import java.lang.reflect.Method;
import java.lang.reflect.Modifier;
import java.nio.file.Files;
import java.nio.file.Path;
import java.util.ArrayList;
import java.util.List;
import java.util.Set;
import java.util.TreeSet;
import java.util.regex.Matcher;
import java.util.regex.Pattern;

/** The form of the program: the document's face, the rules of LANGUAGE.md that can be seen from here, and the room. */
public final class FormTest {
    private static final String[] FACE = {
        "int rain(int,int)", "int yard(int,int)", "int owns(int)", "int borders()", "int walk(int)", "int now(int)",
        "int carpet(int,int)", "int of(int,int)", "int set(int,int,int)", "int turn(int,int)", "int as(int,int)",
        "int roll(int,int)", "int up(int)", "int beat(int)", "int days(int)", "int on(int,int,int)",
        "int ownsOn(int,int)", "int ends(int)", "int bare(int)", "int changes(int)", "int best(int,int)",
        "int take(int,int)", "int kind(int)", "int enough(int,int)", "int weather(int)", "int fewest(int,int)",
        "int feed(int,int)", "int wipe()", "int palace()", "int sheet(int,int,int)", "long write(int,int,long)",
        "int copy(int,int,int,int,int)", "int lays(int)", "int book(int,int)", "int read(int,int)", "int image()",
        "int undo()", "int tear()", "int count(int)", "int status(int)"};
    private static final String[] NOT_IN_SOURCE = {
        "\\b(throw|throws|try|catch|finally|synchronized|assert|package|native|volatile|transient)\\b", "->", "::",
        "\\b(System\\.(?!arraycopy\\b)\\w+|Thread|Runtime|Random|Object|Exception|Error|double|float)\\b", "@",
        "\\w+Exact\\b", "\\bimport (?!java\\.util\\.(Arrays|ArrayList|List);)", "\\bhashCode\\b", "\\btoString\\b"};

    private static int wrong = 0;

    private FormTest() {
    }

    public static void main(String[] args) throws IOException {
        face();
        nested();
        source();
        room();
        System.out.println(wrong == 0 ? "the form is as due" : wrong + " faults of form");
        if (wrong != 0) {
            System.exit(1);
        }
    }

    private static void due(String what, boolean fine) {
        if (!fine) {
            wrong++;
            System.out.println(what);
        }
    }

    private static String signature(Method m) {
        StringBuilder s = new StringBuilder(m.getReturnType() + " " + m.getName() + "(");
        for (int i = 0; i < m.getParameterCount(); i++) {
            s.append(i == 0 ? "" : ",").append(m.getParameterTypes()[i]);
        }
        return s.append(")").toString();
    }

    private static void face() {
        Class<?> c = CarpetRealms.class;
        due("the class isn't public and final", Modifier.isPublic(c.getModifiers()) && Modifier.isFinal(c.getModifiers()));
        Constructor<?>[] made = c.getDeclaredConstructors();
        due("the constructor", made.length == 1 && made[0].getParameterCount() == 0 && Modifier.isPublic(made[0].getModifiers()));
        Set<String> open = new TreeSet<>();
        Set<String> openNames = new TreeSet<>();
        for (Method m : c.getDeclaredMethods()) {
            if (!Modifier.isPrivate(m.getModifiers())) {
                due("a method that is neither public nor private: " + m, Modifier.isPublic(m.getModifiers()));
                open.add(signature(m));
                openNames.add(m.getName());
            }
        }
        due("the public methods are " + open, open.equals(new TreeSet<>(List.of(FACE))));
        for (Method m : c.getDeclaredMethods()) {
            due("a private method with a public one's name: " + m,
                !Modifier.isPrivate(m.getModifiers()) || !openNames.contains(m.getName()));
        }
        for (Field f : c.getDeclaredFields()) {
            due("a field that isn't private: " + f, Modifier.isPrivate(f.getModifiers()));
        }
        due("interfaces of the class", c.getInterfaces().length == 0 && c.getSuperclass() == Object.class);
    }

    private static void nested() {
        List<Class<?>> all = new ArrayList<>(List.of(CarpetRealms.class.getDeclaredClasses()));
        for (Class<?> c : all) {
            int m = c.getModifiers();
            due(c + " isn't static", Modifier.isStatic(m));
            due(c + " is open", !Modifier.isPublic(m) && !Modifier.isProtected(m));
        }
        all.add(CarpetRealms.class);
        due("too many classes: " + all.size(), all.size() <= 12);
        for (Class<?> c : all) {
            int fields = 0;
            for (Field f : c.getDeclaredFields()) {
                due("static and not final: " + f, !Modifier.isStatic(f.getModifiers()) || Modifier.isFinal(f.getModifiers()));
                fields += Modifier.isStatic(f.getModifiers()) ? 0 : 1;
            }
            due("too many fields in " + c, fields <= 20);
            for (Method m : c.getDeclaredMethods()) {
                due("too many parameters: " + m, m.getParameterCount() <= 7);
            }
        }
    }

    private static void source() throws IOException {
        String place = System.getProperty("carpets.source", "src/main/java/CarpetRealms.java");
        String text = Files.readString(Path.of(place));
        due("a sign above 127 in the source", text.chars().allMatch(ch -> ch < 128));
        String code = text.replaceAll("(?s)/\\*.*?\\*/", "").replaceAll("//[^\n]*", "").replaceAll("\"[^\"\n]*\"", "\"\"");
        for (String no : NOT_IN_SOURCE) {
            Matcher m = Pattern.compile(no).matcher(code);
            due("in the source: " + no, !m.find());
        }
        longMethods(code);
    }

    /** Methods of more than sixty lines: from a line that opens one to the line that closes it at the same depth. */
    private static void longMethods(String code) {
        String[] lines = code.split("\n");
        Pattern opens = Pattern.compile("^( {4}| {8})(?!.*\\bclass\\b)\\S.*\\) \\{$");
        for (int i = 0; i < lines.length; i++) {
            Matcher m = opens.matcher(lines[i]);
            if (m.matches()) {
                int end = i;
                while (end < lines.length && !lines[end].equals(m.group(1) + "}")) {
                    end++;
                }
                due("a long method: " + lines[i].trim(), end - i <= 60);
            }
        }
    }

    /** No call may make anything: so what a run makes is what its constructor makes. */
    private static void room() {
        com.sun.management.ThreadMXBean threads = (com.sun.management.ThreadMXBean) ManagementFactory.getThreadMXBean();
        long me = Thread.currentThread().getId();
        everyCall(new CarpetRealms());
        CarpetRealms x = new CarpetRealms();
        threads.getThreadAllocatedBytes(me);
        long before = threads.getThreadAllocatedBytes(me);
        everyCall(x);
        long after = threads.getThreadAllocatedBytes(me);
        due("bytes made by the calls: " + (after - before), after - before < 512);
    }

    private static void everyCall(CarpetRealms x) {
        for (int c = 0; c < 9; c++) {
            x.carpet(c % 6, c % 4);
            x.roll(c, 4 * c);
        }
        x.rain(0, 1);
        x.yard(9, 2);
        x.owns(1);
        x.borders();
        x.walk(9);
        x.now(4);
        x.of(4, 7);
        x.set(4, 4, 3);
        x.turn(7, 5);
        x.as(5, 2);
        x.up(6);
        x.beat(6);
        x.days(2);
        x.on(0, 200, 0);
        x.ownsOn(1, 200);
        x.ends(3);
        x.bare(3);
        x.changes(39);
        x.best(1, 60);
        x.take(1, 60);
        x.kind(1);
        x.enough(4, 60);
        x.weather(60);
        x.fewest(1, 40);
        x.feed(0x64727933, 4);
        x.wipe();
        x.feed(0x64727933, 4);
        x.palace();
        x.palace();
        x.sheet(0, 8, 40);
        x.sheet(1, 8, 40);
        x.write(0, 3, 7L);
        x.copy(0, 0, 1, 1, 39);
        x.lays(1);
        x.book(0, 0);
        x.read(0, 0);
        x.image();
        x.undo();
        x.tear();
        x.count(3);
        x.status(-1);
    }
}
