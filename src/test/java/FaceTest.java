import java.lang.reflect.Constructor;
import java.lang.reflect.Field;
import java.lang.reflect.Method;
import java.lang.reflect.Modifier;
import java.util.Arrays;
import java.util.Set;
import java.util.TreeSet;

/** The class has the document's face, and no other member that is not private. */
public final class FaceTest {
    private static final String A = "IllegalArgumentException";
    private static final String S = "IllegalStateException";
    private static final String N = "NoSuchElementException";
    private static final String I = "IndexOutOfBoundsException";

    private static final String[] FACE = {
        "int pledge(int,int,int) " + A + "," + S + ",UnsupportedOperationException",
        "int redeem(int) " + N,
        "int extend(int,int) " + N + "," + A,
        "int passDays(int) " + A,
        "int setPrice(int) " + A,
        "int setRate(int,int) " + A,
        "int day() ",
        "int price() ",
        "int rateOf(int) " + A,
        "int coins() ",
        "int coinsByAccounts() ",
        "int pledgeCount() ",
        "int pledgeAt(int) " + I,
        "int customerOf(int) " + N,
        "int minutesOf(int) " + N,
        "int loanOf(int) " + N,
        "int dueDayOf(int) " + N,
        "int pledgeByDueDay(int) " + N,
        "int interestOf(int) " + N,
        "int interestByWeeks(int) " + N,
        "int debtAfter(int,int) " + N + "," + A,
        "int cheapestWeekday() ",
        "int mostMinutes(int,int) " + A,
        "int mostMinutesByTable(int,int) " + A,
        "int debtOf(int) " + A,
        "int daysToForfeit() " + N,
        "int bid(int,int,int) " + N + "," + A,
        "int sell(int) " + N + "," + S,
        "int sellEvening() " + S,
        "int lotCount() ",
        "int lotAt(int) " + I,
        "int bidOf(int,int) " + N + "," + A,
        "int buyerOf(int) " + N,
        "int priceOf(int) " + N,
        "int bestEvening() ",
        "int bestEveningByTrying() ",
        "int eveningBuyerOf(int) " + N,
        "int redeemedMinutes() ",
        "int forfeitedMinutes() ",
        "int soldMinutes() ",
        "long pledgedMinutes() ",
        "double meanLoan() ArithmeticException",
        "boolean isConsistent() ",
        "int writeSlip(int) " + N,
        "char slipAt(int) " + I,
        "int type(char) " + A + "," + S,
        "int execute() " + A + "," + S,
        "int errorPosition() " + N,
        "int failedCommand() " + N,
        "int undo() " + S,
        "int save() ",
        "int restore() " + S,
    };

    private static int wrong = 0;

    private static void check(boolean holds, String what) {
        if (!holds) {
            wrong++;
            System.out.println("face: " + what);
        }
    }

    private static String namesOf(Class<?>[] types) {
        StringBuilder names = new StringBuilder();
        for (Class<?> type : types) {
            names.append(names.length() == 0 ? "" : ",").append(type.getSimpleName());
        }
        return names.toString();
    }

    public static void main(String[] args) {
        Class<?> face = MinutePawnshop.class;
        check(Modifier.isPublic(face.getModifiers()) && Modifier.isFinal(face.getModifiers()), "public and final");
        check(face.getPackageName().isEmpty(), "no package");

        Constructor<?>[] constructors = face.getDeclaredConstructors();
        check(constructors.length == 1, "one constructor");
        check(Modifier.isPublic(constructors[0].getModifiers()), "a public constructor");
        check(constructors[0].getParameterCount() == 0, "a constructor without parameters");
        check(constructors[0].getExceptionTypes().length == 0, "a constructor without exceptions");

        Set<String> found = new TreeSet<>();
        Set<String> publicNames = new TreeSet<>();
        for (Method method : face.getDeclaredMethods()) {
            if (method.isSynthetic() || Modifier.isPrivate(method.getModifiers())) {
                continue;
            }
            check(Modifier.isPublic(method.getModifiers()) && !Modifier.isStatic(method.getModifiers()),
                    method.getName() + " is not a public method of the object");
            publicNames.add(method.getName());
            found.add(method.getReturnType().getSimpleName() + " " + method.getName()
                    + "(" + namesOf(method.getParameterTypes()) + ") " + namesOf(method.getExceptionTypes()));
        }
        Set<String> due = new TreeSet<>(Arrays.asList(FACE));
        check(found.equals(due), "found " + found + ", due is " + due);

        for (Method method : face.getDeclaredMethods()) {
            check(!Modifier.isPrivate(method.getModifiers()) || !publicNames.contains(method.getName()),
                    "a private method is named " + method.getName());
        }
        for (Field field : face.getDeclaredFields()) {
            check(field.isSynthetic() || Modifier.isPrivate(field.getModifiers()), "field " + field.getName());
        }
        for (Class<?> inside : face.getDeclaredClasses()) {
            check(!Modifier.isPublic(inside.getModifiers()) && !Modifier.isProtected(inside.getModifiers()),
                    "class " + inside.getSimpleName());
        }
        System.out.println(wrong == 0 ? "the face is as due" : wrong + " faults of the face");
        if (wrong != 0) {
            System.exit(1);
        }
    }
}
