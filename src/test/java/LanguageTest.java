import java.io.IOException;
import java.lang.reflect.Field;
import java.lang.reflect.Method;
import java.lang.reflect.Modifier;
import java.nio.file.Files;
import java.nio.file.Path;
import java.util.Arrays;
import java.util.Set;
import java.util.TreeSet;
import java.util.regex.Matcher;
import java.util.regex.Pattern;

/** The public face of the document, and the rules of LANGUAGE.md that can be seen from outside. */
public final class LanguageTest {
    private static final String[] FACE = {
        "int beam(int,int)", "int now(int)", "int load(int,int)", "int thing(int,int)", "int of(int,int)",
        "int set(int,int,int)", "int carry(int,int)", "int turn(int,int)", "int as(int,int)", "int lay(int)",
        "int take(int)", "int seconds(int)", "int on(int,int,int)", "int then(int,int)", "int gets(int)",
        "int dry(int)", "int lost(int)", "int arrives(int)", "int speed(int,int)", "int far(int,int)",
        "int kind(int,int)", "int thick(int,int)", "int save(int)", "int goal(int)", "int feed(int,int)",
        "int wipe()", "int island()", "int sheet(int,int,int)", "long write(int,int,long)",
        "int copy(int,int,int,int,int)", "int lays(int)", "int book(int,int)", "int read(int,int)", "int image()",
        "int undo()", "int tear()", "int count(int)", "int status(int)"};
    private static final String[] FORBIDDEN = {
        "\\bthrow\\b", "\\btry\\b", "\\bcatch\\b", "\\bsynchronized\\b", "\\bassert\\b", "\\bimport\\b",
        "\\bpackage\\b", "->", "::", "\\bSystem\\.(?!arraycopy)", "Exact\\b", "\\bThread\\b", "\\bRandom\\b",
        "\\bdouble\\b", "\\bfloat\\b", "\\bvar\\b"};

    private static int wrong = 0;

    private static void expect(boolean holds, String what) {
        if (!holds) {
            wrong++;
            System.out.println(what);
        }
    }

    public static void main(String[] args) throws IOException {
        faceIsTheDocuments();
        fieldsAreHidden();
        nestedClassesAreStatic();
        textHasNothingForbidden();
        methodsAreShort();
        System.out.println(wrong == 0 ? "the face and the text are as they should be" : wrong + " rules broken");
        if (wrong != 0) {
            System.exit(1);
        }
    }

    private static String told(Method m) {
        StringBuilder text = new StringBuilder(m.getReturnType().toString()).append(' ').append(m.getName()).append('(');
        Class<?>[] types = m.getParameterTypes();
        for (int k = 0; k < types.length; k++) {
            text.append(k == 0 ? "" : ",").append(types[k]);
        }
        return text.append(')').toString();
    }

    private static void faceIsTheDocuments() {
        Set<String> due = new TreeSet<>(Arrays.asList(FACE));
        Set<String> face = new TreeSet<>();
        Set<String> publicNames = new TreeSet<>();
        for (Method m : BeamSeats.class.getDeclaredMethods()) {
            if (!Modifier.isPrivate(m.getModifiers())) {
                expect(Modifier.isPublic(m.getModifiers()) && !Modifier.isStatic(m.getModifiers()), m + " is on the face");
                face.add(told(m));
                publicNames.add(m.getName());
            }
        }
        expect(face.equals(due), "the face is " + face);
        expect(FACE.length == 38, "the document has 38 methods");
        for (Method m : BeamSeats.class.getDeclaredMethods()) {
            expect(!Modifier.isPrivate(m.getModifiers()) || !publicNames.contains(m.getName()), m + " bears a public name");
        }
        for (Class<?> c : BeamSeats.class.getDeclaredClasses()) {
            for (Method m : c.getDeclaredMethods()) {
                expect(!publicNames.contains(m.getName()), m + " bears a public name");
                expect(m.getParameterCount() <= 7, m + " takes too much");
            }
        }
        int modifiers = BeamSeats.class.getModifiers();
        expect(Modifier.isPublic(modifiers) && Modifier.isFinal(modifiers), "the class is public and final");
        expect(BeamSeats.class.getDeclaredConstructors().length == 1
                && BeamSeats.class.getConstructors().length == 1
                && BeamSeats.class.getConstructors()[0].getParameterCount() == 0, "one constructor");
    }

    private static void fieldsAreHidden() {
        for (Field f : BeamSeats.class.getDeclaredFields()) {
            expect(Modifier.isPrivate(f.getModifiers()), f + " can be seen");
            expect(!Modifier.isStatic(f.getModifiers()) || Modifier.isFinal(f.getModifiers()), f + " is static state");
        }
        for (Class<?> c : BeamSeats.class.getDeclaredClasses()) {
            int fields = 0;
            for (Field f : c.getDeclaredFields()) {
                expect(!Modifier.isStatic(f.getModifiers()) || Modifier.isFinal(f.getModifiers()), f + " is static state");
                fields += Modifier.isStatic(f.getModifiers()) ? 0 : 1;
            }
            expect(fields <= 20, c + " has " + fields + " fields");
        }
    }

    private static void nestedClassesAreStatic() {
        expect(BeamSeats.class.getDeclaredClasses().length <= 12, "too many classes");
        for (Class<?> c : BeamSeats.class.getDeclaredClasses()) {
            expect(Modifier.isStatic(c.getModifiers()), c + " isn't static");
            expect(!Modifier.isPublic(c.getModifiers()), c + " is public");
        }
    }

    private static String code() throws IOException {
        String text = Files.readString(Path.of("src/main/java/BeamSeats.java"));
        return text.replaceAll("(?s)/\\*.*?\\*/", " ").replaceAll("//[^\n]*", " ").replaceAll("\"[^\"\n]*\"", "\"\"");
    }

    private static void textHasNothingForbidden() throws IOException {
        String code = code();
        for (String word : FORBIDDEN) {
            Matcher m = Pattern.compile(word).matcher(code);
            expect(!m.find(), "the text has " + word);
        }
        // all that is made is made with the object, so that no call makes anything
        for (String line : code.split("\n")) {
            expect(!line.contains("new ") || line.matches("\\s+(private )?final .* = new .*")
                    || line.trim().equals("sheets[s] = new Sheet();"), "a call makes something: " + line.trim());
        }
    }

    private static void methodsAreShort() throws IOException {
        String[] lines = code().split("\n");
        int start = -1;
        String indent = "";
        for (int k = 0; k < lines.length; k++) {
            Matcher m = Pattern.compile("^( {4}| {8})(?!.*\\bclass\\b)\\w.*\\) \\{$").matcher(lines[k]);
            if (start < 0 && m.find() && !lines[k].trim().startsWith("for") && !lines[k].trim().startsWith("if")) {
                start = k;
                indent = m.group(1);
            } else if (start >= 0 && lines[k].equals(indent + "}")) {
                expect(k - start < 60, "the method of line " + (start + 1) + " is long");
                start = -1;
            }
        }
    }
}
