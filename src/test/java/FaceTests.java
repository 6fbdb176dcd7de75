import java.io.IOException;
import java.lang.reflect.Constructor;
import java.lang.reflect.Field;
import java.lang.reflect.Method;
import java.lang.reflect.Modifier;
import java.nio.file.Files;
import java.nio.file.Path;
import java.util.ArrayList;
import java.util.HashSet;
import java.util.List;
import java.util.Set;
import java.util.TreeSet;
import java.util.regex.Matcher;
import java.util.regex.Pattern;

/** The face that the document tells, and what of ../shared/LANGUAGE.md can be seen from outside or in the source. */
public final class FaceTests {
    private static final String[] FACE = {
        "int sign(int)", "boolean end(int)", "int streets()", "int rule()", "int street(int,int) throws",
        "int bin(int,int,int,int) throws", "int set(int,int)", "int dayOf(int,int)", "int sheet(int,int,int,int)",
        "int drive(int)", "int empty(int,int)", "int tip()", "int pause(int)", "int week()", "int round()", "int undo()",
        "int takes(int,int)", "int best(int)", "int less(int)", "int line(int)", "int hill(int) throws", "int wet(int,int)",
        "int order()", "int soonest(int)", "int most(int,int)", "int tipnow(int)", "int share(int)", "int holiday(int,int)",
        "int busiest()", "int weighed(int,int)", "int forget()", "int rubble()", "int whose()", "int next()",
        "int right(int,int)", "int care(int,int)", "int weeks(int,int,int)", "boolean keep(int)", "boolean again(int)",
        "int count(int)", "long row(int) throws"};

    private static final String[] NOT_WRITTEN = {"->", "::", "synchronized", "assert ", "finally", "Exact", "System.out",
        "import java.util.*", "package ", "instanceof", "catch", "@", "hashCode", "toString", "getMessage"};

    public static void main(String[] args) throws IOException {
        face();
        members(BinsBothSides.class);
        source(Files.readString(Path.of("src/main/java/BinsBothSides.java")));
        Check.end("FaceTests");
    }

    private static void face() {
        Set<String> want = new TreeSet<>(List.of(FACE));
        Set<String> got = new TreeSet<>();
        for (Method method : BinsBothSides.class.getDeclaredMethods()) {
            if (!Modifier.isPrivate(method.getModifiers()) && !method.isSynthetic()) {
                Check.due(method.getName() + " is public", Modifier.isPublic(method.getModifiers()), true);
                StringBuilder face = new StringBuilder(method.getReturnType().getName()).append(' ').append(method.getName()).append('(');
                for (int i = 0; i < method.getParameterCount(); i++) {
                    face.append(i == 0 ? "" : ",").append(method.getParameterTypes()[i].getName());
                }
                got.add(face.append(')').append(method.getExceptionTypes().length > 0 ? " throws" : "").toString());
            }
        }
        Check.due("the methods", got.toString(), want.toString());
        Constructor<?>[] constructors = BinsBothSides.class.getDeclaredConstructors();
        Check.due("constructors", constructors.length, 1);
        Check.due("the constructor is public", Modifier.isPublic(constructors[0].getModifiers()), true);
        Check.due("the class is public and final",
            BinsBothSides.class.getModifiers() & (Modifier.PUBLIC | Modifier.FINAL), Modifier.PUBLIC | Modifier.FINAL);
        for (Field field : BinsBothSides.class.getDeclaredFields()) {
            Check.due("the field " + field.getName() + " is private, but NONE",
                Modifier.isPrivate(field.getModifiers()), !field.getName().equals("NONE"));
        }
    }

    /** No private method, of the classes inside too, bears the name of a public one; classes stay small. */
    private static void members(Class<?> of) {
        Set<String> names = new HashSet<>();
        for (String face : FACE) {
            names.add(face.substring(face.indexOf(' ') + 1, face.indexOf('(')));
        }
        List<Class<?>> classes = new ArrayList<>(List.of(of.getDeclaredClasses()));
        Check.due("some twelve classes at most", classes.size() <= 12, true);
        classes.add(of);
        for (Class<?> one : classes) {
            int fields = 0;
            for (Field field : one.getDeclaredFields()) {
                boolean fixed = Modifier.isStatic(field.getModifiers());
                fields += fixed ? 0 : 1;
                Check.due(one.getName() + "." + field.getName() + ": static is final",
                    !fixed || Modifier.isFinal(field.getModifiers()), true);
            }
            Check.due("some twenty fields at most in " + one.getName(), fields <= 20, true);
            for (Method method : one.getDeclaredMethods()) {
                if (one != of || Modifier.isPrivate(method.getModifiers())) {
                    Check.due(one.getName() + "." + method.getName() + " bears the name of a public one",
                        names.contains(method.getName()), false);
                }
                Check.due("seven parameters at most of " + method.getName(), method.getParameterCount() <= 7, true);
            }
        }
    }

    private static void source(String text) {
        for (String word : NOT_WRITTEN) {
            Check.due("the source has " + word, text.contains(word), false);
        }
        Matcher imports = Pattern.compile("(?m)^import (.*);").matcher(text);
        while (imports.find()) {
            Check.due("import " + imports.group(1),
                List.of("java.util.Arrays", "java.util.NoSuchElementException").contains(imports.group(1)), true);
        }
        Matcher made = Pattern.compile("throw new (\\w+)").matcher(text);
        while (made.find()) {
            Check.due("throws", made.group(1), "NoSuchElementException");
        }
        for (int i = 0; i < text.length(); i++) {
            if (text.charAt(i) > 126) {
                Check.due("a sign above 126 at " + i, false, true);
            }
        }
        lengths(text.split("\n"));
    }

    /** Methods stay short: from a line that opens one to the line of its closing brace. */
    private static void lengths(String[] lines) {
        Pattern opens = Pattern.compile("^( {4}| {8})(?!if|for|while|switch)[\\w\\[\\]<>]+[\\w\\[\\]<> ]*\\(.*\\{$");
        for (int i = 0; i < lines.length; i++) {
            Matcher open = opens.matcher(lines[i]);
            if (open.matches()) {
                int end = i;
                while (!lines[end].equals(open.group(1) + "}")) {
                    end++;
                }
                Check.due("some sixty lines at most: " + lines[i].trim(), end - i < 60, true);
            }
        }
    }
}
