import java.lang.reflect.Constructor;
import java.lang.reflect.Field;
import java.lang.reflect.Method;
import java.lang.reflect.Modifier;
import java.util.Set;
import java.util.TreeSet;

/** The class has the members of the document's face, and no other that another class can reach. */
public final class FaceTest {
    private static final String[] FACE = {
        "int status()", "long top()", "long bottom()", "boolean tray(int,int,int)", "boolean write(int,int,long)",
        "long read(int,int)", "boolean pour(int,int,int,int,int)", "int feed(int,int,int,int,int)", "int town(int)",
        "int plan(int)", "int fault(int)", "int told(int)", "int wall(int)", "int sways(int)", "int cart(int,int)",
        "int lamp(int)", "int person(int,int)", "int at(int,int)", "int looks(int,int)", "int did(int,int)",
        "long sight(int,int)", "int weight(int,int,int)", "int unseen(int,int,int)", "int near(int,int,int)",
        "int first(int,int,int)", "int judged(int)", "int way(int,int)", "int wayCell(int)",
        "int likeliest(int,int,int)", "int shown(int)", "int found(int,long)", "long mayBe(int,int,int)",
        "int meeting(int,int)", "int hunted(int,int)", "int lamps(int)", "int words(int,int,int)", "int moving(int)",
        "int gone(int)", "int stands(int,int)", "int stood(int,int)", "int followed(int,int,int)",
        "int signs(int,int,int)", "int swept(int,int)", "int gallery(int)", "int day(int)", "int saw(int)",
        "int caught()", "boolean safe(int,int)", "int mark()", "int back()",
    };

    public static void main(String[] args) {
        Set<String> want = new TreeSet<>(Set.of(FACE));
        Set<String> got = new TreeSet<>();
        for (Method method : StillTown.class.getDeclaredMethods()) {
            if (!Modifier.isPrivate(method.getModifiers())) {
                Check.due(method + " is public", Modifier.isPublic(method.getModifiers()), true);
                StringBuilder types = new StringBuilder();
                for (Class<?> type : method.getParameterTypes()) {
                    types.append(types.length() == 0 ? "" : ",").append(type);
                }
                got.add(method.getReturnType() + " " + method.getName() + "(" + types + ")");
            }
        }
        Check.due("the methods are those of the face " + got, got.equals(want), true);
        for (Field field : StillTown.class.getDeclaredFields()) {
            boolean isNone = field.getName().equals("NONE");
            Check.due(field + " is private", Modifier.isPrivate(field.getModifiers()), !isNone);
        }
        for (Constructor<?> made : StillTown.class.getDeclaredConstructors()) {
            Check.due(made + " is public", Modifier.isPublic(made.getModifiers()), true);
            Check.due(made + " takes nothing", made.getParameterCount(), 0);
        }
        Check.due("the class is final", Modifier.isFinal(StillTown.class.getModifiers()), true);
        Check.due("NONE", StillTown.NONE, -1);
        for (Class<?> inner : StillTown.class.getDeclaredClasses()) {
            Check.due(inner + " is static", Modifier.isStatic(inner.getModifiers()), true);
            Check.due(inner + " is not public", Modifier.isPublic(inner.getModifiers()), false);
            for (Method method : inner.getDeclaredMethods()) {
                boolean taken = got.stream().anyMatch(row -> row.contains(" " + method.getName() + "("));
                Check.due(method + " has a name of the face", taken, false);
            }
        }
        Check.finish("FaceTest");
    }
}
