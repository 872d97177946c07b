/** Promise 18: log. The values come from the same steps done in another language. */
public final class LogTest {
    public static void main(String[] args) {
        Checks checks = new Checks("LogTest");
        HybridSearch x = new HybridSearch();
        double[] due = {
            1.0, 0.0,
            1.0000000000000002, 2.220446049250313e-16,
            1.5, 0.4054651081081642,
            1.9999999999999998, 0.6931471805498114,
            2.0, 0.6931471805599453,
            2.0000000000000004, 0.6931471805599455,
            3.0, 1.0986122886681096,
            3.9999999999999996, 1.3862943611097567,
            4.0, 1.3862943611198906,
            7.25, 1.9810014688660949,
            8.0, 2.0794415416798357,
            1e10, 23.025850929940454,
            0x1p1023, 709.0895657128241,
            Math.nextDown(Double.MAX_VALUE), 709.7827128933739,
            Double.MAX_VALUE, 709.7827128933739,
            Math.nextDown(1.0), -1,
            0.0, -1,
            -0.0, -1,
            -1.0, -1,
            -5.0, -1,
            -Double.MAX_VALUE, -1,
            Double.MIN_VALUE, -1,
            Double.NaN, -1,
            Double.POSITIVE_INFINITY, -1,
            Double.NEGATIVE_INFINITY, -1,
        };
        for (int i = 0; i < due.length; i += 2) {
            double n = due[i];
            checks.answersDouble("log(" + n + ")", due[i + 1], () -> x.log(n));
        }
        HybridSearch y = Samples.full();
        checks.answersDouble("log of a full object", 0.6931471805599453, () -> y.log(2));
        checks.same("log changes nothing", Probe.of(Samples.full()), Probe.of(y));
        checks.end();
    }
}
