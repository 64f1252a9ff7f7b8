import java.io.IOException;
import java.nio.file.Files;
import java.nio.file.Path;
import java.util.List;

/** What README.md says that calls answer, and that its words stand there as they are tried here. */
public final class ReadmeTest {
    private static final Due due = new Due("ReadmeTest");
    private static final LongYear lump = new LongYear();
    private static List<String> lines;

    public static void main(String[] args) throws IOException {
        lines = Files.readAllLines(Path.of("README.md"));
        told();
        asked();
        gone();
        owed();
        text();
        refused();
        due.end();
    }

    private static void said(String call, long got, long want) {
        due.is(call, got, want);
        boolean there = false;
        for (String line : lines) there |= line.startsWith("lump." + call + ";") && line.contains("// " + want);
        due.holds("README.md says: " + call + " answers " + want, there);
    }

    private static void told() {
        said("year(6)", lump.year(6), 10);
        said("store(0, 60)", lump.store(0, 60), 0);
        lump.store(1, 20);
        lump.store(2, 6);
        lump.store(3, 40);
        said("family(0, 4, 9)", lump.family(0, 4, 9), 0);
        said("family(2, 3, 2)", lump.family(2, 3, 2), 1);
        said("job(0, 4)", lump.job(0, 4), 0);
    }

    private static void asked() {
        said("fields()", lump.fields(), 7);
        said("want(20)", lump.want(20), 9);
        said("held(9)", lump.held(9), 54);
        said("plan(4, -1)", lump.plan(4, -1), 18);
        said("plan(4, 0)", lump.plan(4, 0), 0);
        said("teachers(5)", lump.teachers(5), 1);
        said("meet(10, 1)", lump.meet(10, 1), 11);
        said("chance(9, 3)", lump.chance(9, 3), 1);
        said("part(0)", lump.part(0), 7);
        said("part(1)", lump.part(1), 10);
    }

    private static void gone() {
        said("image(0)", lump.image(0), 1);
        said("pass(5)", lump.pass(5), 0);
        said("count(2)", lump.count(2), 10);
        said("undo()", lump.undo(), 1);
        said("count(12)", lump.count(12), 4);
        said("from(0)", lump.from(0), 1);
    }

    private static void owed() {
        said("debt(0, 1, 100)", lump.debt(0, 1, 100), 0);
        said("rate(10)", lump.rate(10), 0);
        said("net(1)", lump.net(1), 150);
        said("report(0, 0, 20)", lump.report(0, 0, 20), 0);
        said("report(0, 1, 30)", lump.report(0, 1, 30), 1);
        said("liars(0)", lump.liars(0), 1);
    }

    private static void text() {
        String told = "year 60; store 0 60; family 0 4 3; job 0 3;";
        Due.type(lump, told);
        said("read()", lump.read(), 4);
        due.is("read, famly", Due.read(lump, told.replace("family", "famly")), -31);
    }

    private static void refused() {
        LongYear x = new LongYear();
        due.is("no store 4", x.store(4, 1), LongYear.BAD);
        due.is("plan of 6 YEARS", x.plan(6, 0), -10);
        due.is("held for 201 YEARS", x.held(201), -10);
        due.is("net of nobody", x.net(0), -100000);
        due.is("status 3", x.status(3), -1);
        due.is("nothing to undo", x.undo(), LongYear.NO);
        due.is("no image kept", x.from(1), LongYear.NO);
        x.year(2);
        due.is("18 NOONS", x.chance(36, 1), LongYear.NO);
        for (int f = 0; f < 6; f++) x.family(0, 1, 1);
        due.is("a 7th family", x.family(0, 1, 1), LongYear.FULL);
        due.is("not so many", x.plan(1, 1), -1);
        x.store(0, 100);
        due.is("not so many", x.plan(1, 1), -5);
        due.is("an empty text", x.read(), -10);
        due.is("BAD", x.status(0), 5);
        due.is("NO", x.status(1), 3);
        due.is("FULL", x.status(2), 1);
    }
}
