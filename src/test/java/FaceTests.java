import java.io.IOException;
import java.io.InputStream;
import java.lang.reflect.Constructor;
import java.lang.reflect.Field;
import java.lang.reflect.Method;
import java.lang.reflect.Modifier;
import java.nio.charset.StandardCharsets;
import java.nio.file.Files;
import java.nio.file.Path;
import java.util.ArrayList;
import java.util.HashSet;
import java.util.List;
import java.util.Set;
import java.util.TreeSet;
import java.util.regex.Matcher;
import java.util.regex.Pattern;

/** The face that the document tells, and what of ../shared/LANGUAGE.md can be seen in the classes or in the source. */
public final class FaceTests {
    private static final String[] FACE = {
        "int sign(int)", "boolean end(int)", "int streets()", "int rule()", "int street(int,int) throws",
        "int bin(int,int,int,int) throws", "int set(int,int)", "int dayOf(int,int)", "int sheet(int,int,int,int)",
        "int drive(int)", "int empty(int,int)", "int tip()", "int pause(int)", "int week()", "int round()", "int undo()",
        "int takes(int,int)", "int best(int)", "int less(int)", "int line(int)", "int hill(int) throws", "int wet(int,int)",
        "int order()", "int soonest(int)", "int most(int,int)", "int tipnow(int)", "int share(int)", "int holiday(int,int)",
        "int busiest()", "int weighed(int,int)", "int forget()", "int rubble()", "int whose()", "int next()",
        "int right(int,int)", "int care(int,int)", "int weeks(int,int,int)", "boolean keep(int)", "boolean again(int)",
        "int count(int)", "long row(int) throws"};

    /** What may be imported, and what of the library a class may name at all (rules 4, 6 and 12). */
    private static final Set<String> IMPORTS = Set.of("java.util.ArrayList", "java.util.Arrays", "java.util.Iterator",
        "java.util.List", "java.util.NoSuchElementException");
    private static final Set<String> LIBRARY = Set.of("java/lang/Object", "java/lang/String", "java/lang/StringBuilder",
        "java/lang/Integer", "java/lang/Long", "java/lang/Math", "java/lang/System", "java/lang/Enum", "java/lang/Record",
        "java/lang/Iterable", "java/lang/Comparable", "java/util/ArrayList", "java/util/List", "java/util/Iterator",
        "java/util/Arrays", "java/util/NoSuchElementException", "java/lang/IllegalStateException",
        "java/lang/IllegalArgumentException", "java/lang/IndexOutOfBoundsException", "java/lang/ArithmeticException",
        "java/lang/UnsupportedOperationException", "java/lang/RuntimeException");
    private static final Set<String> THROWN = Set.of("IllegalStateException", "IllegalArgumentException",
        "IndexOutOfBoundsException", "ArithmeticException", "UnsupportedOperationException", "NoSuchElementException",
        "RuntimeException");

    /** By rule: what no line of the source may have, comments and texts aside. */
    private static final String[][] FORBIDDEN = {
        {"rule 1", "^\\s*package\\b"}, {"rule 2", "::"}, {"rule 2", "^(?!\\s*(case|default)\\b).*->"}, {"rule 4", "\\w+Exact\\s*\\("},
        {"rule 5", "\\bstatic\\s*\\{"}, {"rule 6", "\\bfinally\\b"}, {"rule 6", "\\bsynchronized\\b"}, {"rule 6", "\\bassert\\b"},
        {"rule 6", "\\b(getMessage|printStackTrace)\\b"}, {"rule 6", "\\b(equals|hashCode|toString)\\s*\\([^)]*\\)\\s*\\{"},
        {"rule 13", "\\bSystem\\.(?!arraycopy\\b)"},
        {"the machine's own", "\\b(ArrayIndexOutOfBounds|NullPointer|ClassCast|NegativeArraySize|ArrayStore)Exception\\b"}};

    private static final String TEXTS_AND_COMMENTS =
        "\"(\\\\.|[^\"\\\\\n])*\"|'(\\\\.|[^'\\\\])'|//[^\n]*|(?s)/\\*.*?\\*/";

    public static void main(String[] args) throws IOException {
        face();
        List<Class<?>> classes = new ArrayList<>(List.of(BinsBothSides.class.getDeclaredClasses()));
        Check.due("some twelve classes at most", classes.size() <= 14, true);
        classes.add(BinsBothSides.class);
        for (Class<?> one : classes) {
            members(one);
            library(one);
        }
        source(Files.readString(Path.of("src/main/java/BinsBothSides.java"), StandardCharsets.ISO_8859_1));
        Check.end("FaceTests");
    }

    private static void face() {
        Set<String> want = new TreeSet<>(List.of(FACE));
        Set<String> got = new TreeSet<>();
        for (Method method : BinsBothSides.class.getDeclaredMethods()) {
            if (!Modifier.isPrivate(method.getModifiers()) && !method.isSynthetic()) {
                Check.due(method.getName() + " is public", Modifier.isPublic(method.getModifiers()), true);
                StringBuilder face = new StringBuilder(method.getReturnType().getName()).append(' ').append(method.getName()).append('(');
                for (int i = 0; i < method.getParameterCount(); i++) {
                    face.append(i == 0 ? "" : ",").append(method.getParameterTypes()[i].getName());
                }
                for (Class<?> thrown : method.getExceptionTypes()) {
                    Check.due(method.getName() + " is told to throw", thrown.getName(), "java.util.NoSuchElementException");
                }
                got.add(face.append(')').append(method.getExceptionTypes().length > 0 ? " throws" : "").toString());
            }
        }
        Check.due("the methods", got.toString(), want.toString());
        Constructor<?>[] constructors = BinsBothSides.class.getDeclaredConstructors();
        Check.due("constructors", constructors.length, 1);
        Check.due("the constructor takes nothing", constructors[0].getParameterCount(), 0);
        Check.due("the constructor is public", Modifier.isPublic(constructors[0].getModifiers()), true);
        Check.due("the class is public and final",
            BinsBothSides.class.getModifiers() & (Modifier.PUBLIC | Modifier.FINAL), Modifier.PUBLIC | Modifier.FINAL);
        for (Field field : BinsBothSides.class.getDeclaredFields()) {
            Check.due("the field " + field.getName() + " is private, but NONE",
                Modifier.isPrivate(field.getModifiers()), !field.getName().equals("NONE"));
        }
        Check.due("NONE", BinsBothSides.NONE, -1);
    }

    /** No private method bears the name of a public one; static fields are final; classes stay small. */
    private static void members(Class<?> one) {
        Set<String> names = new HashSet<>();
        for (String face : FACE) {
            names.add(face.substring(face.indexOf(' ') + 1, face.indexOf('(')));
        }
        Check.due(one.getName() + " is public or inside", one == BinsBothSides.class || !Modifier.isPublic(one.getModifiers()), true);
        int fields = 0;
        for (Field field : one.getDeclaredFields()) {
            boolean fixed = Modifier.isStatic(field.getModifiers());
            fields += fixed ? 0 : 1;
            Check.due(one.getName() + "." + field.getName() + ": static is final", !fixed || Modifier.isFinal(field.getModifiers()), true);
        }
        Check.due("some twenty fields at most in " + one.getName(), fields <= 24, true);
        for (Method method : one.getDeclaredMethods()) {
            if (Modifier.isPrivate(method.getModifiers())) {
                Check.due(one.getName() + "." + method.getName() + " bears the name of a public one", names.contains(method.getName()), false);
            }
            Check.due("seven parameters at most of " + method.getName(), method.getParameterCount() <= 7, true);
        }
    }

    /** Names of the library stand in a class file as they are; texts joined by + and lambdas would name java/lang/invoke. */
    private static void library(Class<?> one) throws IOException {
        String file = one.getName().replace('.', '/') + ".class";
        try (InputStream in = FaceTests.class.getClassLoader().getResourceAsStream(file)) {
            String bytes = new String(in.readAllBytes(), StandardCharsets.ISO_8859_1);
            Matcher named = Pattern.compile("java/\\w+/[\\w/]+").matcher(bytes);
            while (named.find()) {
                boolean record = one.isRecord() && named.group().matches("java/lang/(invoke|runtime)/.*");
                Check.due(one.getName() + " names " + named.group(), record || LIBRARY.contains(named.group()), true);
            }
        }
    }

    private static void source(String text) {
        for (int i = 0; i < text.length(); i++) {
            if (text.charAt(i) > 126) {
                Check.due("a sign above 126 at " + i, false, true);
            }
        }
        String bare = text.replaceAll(TEXTS_AND_COMMENTS, " ");
        for (String[] forbidden : FORBIDDEN) {
            Matcher matcher = Pattern.compile(forbidden[1], Pattern.MULTILINE).matcher(bare);
            Check.due(forbidden[0] + ", " + forbidden[1], matcher.find() ? matcher.group().trim() : "", "");
        }
        Matcher imports = Pattern.compile("(?m)^import (.*);").matcher(bare);
        while (imports.find()) {
            Check.due("import " + imports.group(1), IMPORTS.contains(imports.group(1)), true);
        }
        Matcher thrown = Pattern.compile("\\bthrow\\b\\s*(new\\s+)?(\\w+)").matcher(bare);
        while (thrown.find()) {
            Check.due("throws " + thrown.group(2), thrown.group(1) != null && THROWN.contains(thrown.group(2)), true);
        }
        lengths(bare.split("\n"));
    }

    /** Methods stay short: from a line that opens one to the line of its closing brace. */
    private static void lengths(String[] lines) {
        Pattern opens = Pattern.compile("^( {4}| {8})(?!if|for|while|switch)[\\w\\[\\]<>]+[\\w\\[\\]<> ]*\\(.*\\{$");
        for (int i = 0; i < lines.length; i++) {
            Matcher open = opens.matcher(lines[i]);
            if (open.matches()) {
                int end = i;
                while (end < lines.length && !lines[end].equals(open.group(1) + "}")) {
                    end++;
                }
                Check.due("some sixty lines at most: " + lines[i].trim(), end - i <= 70, true);
            }
        }
    }
}
