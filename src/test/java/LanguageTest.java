import java.nio.file.Path;
import java.util.Map;
import java.util.Set;
import java.util.TreeSet;
import javax.lang.model.element.Element;

/** The rules of LANGUAGE.md, as far as the source tells them; where the class needs less than a rule allows, that. */
final class LanguageTest {
    static final Set<String> EXCEPTIONS = Set.of("IllegalStateException", "IllegalArgumentException",
            "IndexOutOfBoundsException", "ArithmeticException", "UnsupportedOperationException",
            "NoSuchElementException");
    private static final Set<String> KINDS_RULED_OUT = Set.of("LAMBDA_EXPRESSION", "MEMBER_REFERENCE", "SYNCHRONIZED",
            "ASSERT", "TRY", "WHILE_LOOP", "DO_WHILE_LOOP", "INSTANCE_OF", "SWITCH_EXPRESSION", "PACKAGE", "ANNOTATION",
            "INTERSECTION_TYPE", "UNION_TYPE", "YIELD");
    private static final Set<String> LIBRARY = Set.of("java.lang.String.length", "java.lang.String.charAt",
            "java.lang.Math.min", "java.lang.Math.max", "java.lang.System.arraycopy");
    private static final Set<String> TYPES = Set.of("void", "int", "long", "char", "boolean", "double", "float",
            "int[]", "long[]", "char[]", "boolean[]", "java.lang.String");

    private LanguageTest() {
    }

    static void run(Path file) throws Exception {
        Check.promise(0);
        Source source = Source.read(file);
        Check.equal("what breaks a rule where it stands", "[]", source.faults.toString());
        Check.equal("rule 1: the imports", Set.of("java.util.NoSuchElementException"), source.imports);
        namesOfPrivateMethods(source);
        Check.equal("the kinds of parts that are ruled out", "[]", common(source.kinds, KINDS_RULED_OUT));
        Check.equal("rule 2: other types of an enum's fields", "[]",
                others(source.enumFields, Set.of("int", "long", "boolean", "java.lang.String")));
        Check.equal("rule 3: other types", "[]", others(source.types, withOwn(TYPES, source)));
        Check.equal("rule 4: other calls of the library", "[]", others(source.libraryCalls, LIBRARY));
        Check.equal("rule 4: signs of texts", Set.of("good"), source.signs);
        Check.equal("rule 5: other types of static fields", "[]",
                others(source.staticFields, Set.of("int", "java.lang.String", "ParcelDepot.Form[]")));
        sizes(source);
        depths(source);
    }

    private static String others(Set<String> found, Set<String> allowed) {
        Set<String> others = new TreeSet<>(found);
        others.removeAll(allowed);
        return others.toString();
    }

    private static String common(Set<String> found, Set<String> ruledOut) {
        Set<String> common = new TreeSet<>(found);
        common.retainAll(ruledOut);
        return common.toString();
    }

    private static Set<String> withOwn(Set<String> types, Source source) {
        Set<String> all = new TreeSet<>(types);
        for (String own : source.ownTypes) {
            all.add(own);
            all.add(own + "[]");
        }
        return all;
    }

    private static void namesOfPrivateMethods(Source source) {
        Set<String> face = new TreeSet<>();
        for (var method : ParcelDepot.class.getMethods()) {
            face.add("." + method.getName());
        }
        for (Source.Method method : source.methods.values()) {
            String name = method.name.substring(method.name.lastIndexOf('.'));
            Check.holds("rule 1: " + method.name + " bearing a name of its own",
                    !method.isPrivate || !face.contains(name));
        }
    }

    private static void sizes(Source source) {
        Check.holds("rule 11: at most twelve classes, " + source.ownTypes, source.ownTypes.size() <= 12);
        for (Map.Entry<String, Integer> fields : source.fieldsOfClasses.entrySet()) {
            Check.holds("rule 11: at most twenty fields, " + fields, fields.getValue() <= 20);
        }
        for (Source.Method method : source.methods.values()) {
            Check.holds("rule 11: at most seven parameters of " + method.name, method.parameters <= 7);
            Check.holds("rule 11: at most sixty lines of " + method.name, method.lines <= 60);
        }
    }

    private static void depths(Source source) {
        for (Map.Entry<Element, Source.Method> method : source.methods.entrySet()) {
            int depth = source.depth(method.getKey());
            Check.holds("rule 11: calls at most eight deep from " + method.getValue().name + ", " + depth, depth <= 8);
        }
    }
}
