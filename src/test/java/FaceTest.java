import java.lang.reflect.Constructor;
import java.lang.reflect.Field;
import java.lang.reflect.Method;
import java.lang.reflect.Modifier;
import java.util.Set;
import java.util.TreeSet;

/** The public face as the document prints it, and nothing else that can be seen. */
public final class FaceTest {
    private static final String[] FACE = {
        "int feed(int,int,int,int,int)", "int town(int)", "int plan(int,int,int)", "int law(int)", "int reports(int)",
        "boolean strike(int)", "int gives(int)", "boolean choose(int,int)", "boolean sun(int)", "int report(int,int)",
        "int at(int,int)", "int sees(int,int)", "int hears(int,int)", "int shadow(int,int,int)", "int holds(int)",
        "int told(int)", "int best(int)", "long struck()", "int quarrel(int)", "int ask(int)", "int enough(int)",
        "long between(int,int,int,int)", "long through(int,int,int,int,int,int)", "int maybe(int,int,int,int,int)",
        "int met(int,int,int,int)", "int liar(int)", "int falls(int,int,int,int)", "int argued(int)", "int tram(int)",
        "boolean found(int,int)", "int tickets(int)", "int mayHave(int)", "int word(int,int,int)",
        "int knows(int,int,int)", "int paged(int,int,int)", "boolean thing(int,int)", "boolean carry(int,int,int,int)",
        "int where(int,int)", "int unseen(int,int)", "int never(int,int,int)", "int blind(int)",
        "int halves(int,int,int)", "long sure(int,int,int)", "int keep()", "boolean undo()", "int check(int,int)",
        "int count(int)",
    };

    private static final Set<Class<?>> STATIC = Set.of(int.class, long.class, boolean.class, char.class, String.class);

    public static void main(String[] args) {
        Set<String> due = new TreeSet<>(Set.of(FACE));
        Set<String> names = new TreeSet<>();
        Set<String> there = new TreeSet<>();
        for (Method method : DayMuseum.class.getDeclaredMethods()) {
            if (!Modifier.isPrivate(method.getModifiers())) {
                there.add(told(method));
                names.add(method.getName());
            }
        }
        Museum.due("methods " + there, there.equals(due), true);
        Museum.due("how many", due.size(), 47);
        Museum.due("the class", DayMuseum.class.getModifiers(), Modifier.PUBLIC | Modifier.FINAL);
        for (Constructor<?> made : DayMuseum.class.getDeclaredConstructors()) {
            Museum.due("the constructor", Modifier.isPublic(made.getModifiers()) && made.getParameterCount() == 0, true);
        }
        for (Field field : DayMuseum.class.getDeclaredFields()) {
            boolean isPrivate = Modifier.isPrivate(field.getModifiers());
            Museum.due("field " + field.getName(), isPrivate != field.getName().equals("NONE"), true);
        }
        nothingElse(DayMuseum.class, names);
        fields(DayMuseum.class);
        Museum.due("no class is local or has no name", DayMuseum.class.getNestMembers().length,
            DayMuseum.class.getDeclaredClasses().length + 1);
        Museum.end("FaceTest");
    }

    /** Rules 3, 5 and 11 of LANGUAGE.md: types, static fields, some twenty fields in a class. */
    private static void fields(Class<?> of) {
        int many = 0;
        for (Field field : of.getDeclaredFields()) {
            String name = of.getName() + "." + field.getName();
            Class<?> type = field.getType();
            Class<?> part = type.isArray() ? type.getComponentType() : type;
            if (Modifier.isStatic(field.getModifiers())) {
                Museum.due(name + " is final", Modifier.isFinal(field.getModifiers()), true);
                Museum.due(name + " is of " + type, STATIC.contains(part), true);
            } else {
                many++;
                boolean own = of.getNestHost() == type.getNestHost();
                Museum.due(name + " is of " + type, part.isPrimitive() || own, true);
            }
        }
        Museum.due("fields of " + of.getName(), many <= 20, true);
        for (Class<?> inside : of.getDeclaredClasses()) {
            fields(inside);
        }
    }

    private static String told(Method method) {
        StringBuilder all = new StringBuilder(method.getReturnType() + " " + method.getName() + "(");
        for (Class<?> type : method.getParameterTypes()) {
            all.append(all.charAt(all.length() - 1) == '(' ? "" : ",").append(type);
        }
        return all.append(")").toString();
    }

    /** No private method, in no class inside, bears the name of a public one; classes inside are static. */
    private static void nothingElse(Class<?> of, Set<String> names) {
        for (Class<?> inside : of.getDeclaredClasses()) {
            Museum.due(inside.getName() + " is static", Modifier.isStatic(inside.getModifiers()), true);
            Museum.due(inside.getName() + " is not public", Modifier.isPublic(inside.getModifiers()), false);
            for (Method method : inside.getDeclaredMethods()) {
                Museum.due(inside.getName() + "." + method.getName(), names.contains(method.getName()), false);
            }
            nothingElse(inside, names);
        }
        for (Method method : of.getDeclaredMethods()) {
            boolean hidden = Modifier.isPrivate(method.getModifiers());
            Museum.due(of.getName() + "." + method.getName(), hidden && names.contains(method.getName()), false);
        }
    }
}
